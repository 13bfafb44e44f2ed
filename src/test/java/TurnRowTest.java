import java.lang.reflect.Field;

/**
 * Which turns are kept. No answer of the face can tell that (what is done is the same for every row
 * of turns), so this one test looks inside the object.
 */
public final class TurnRowTest {
    public static void main(String[] args) throws ReflectiveOperationException {
        Due due = new Due();
        theFirstFiveHundred(due);
        thoseOfUnknownNodesAreLost(due);
        goneBehindTheFirstMicrosecond(due);
        goneBehindARunOfNone(due);
        due.end();
    }

    private static Object inside(CarThreads x, String name) throws ReflectiveOperationException {
        Field field = CarThreads.class.getDeclaredField(name);
        field.setAccessible(true);
        return field.get(x);
    }

    private static int count(CarThreads x) throws ReflectiveOperationException {
        return (Integer) inside(x, "turnCount");
    }

    /** "the first 500 of one; others .. are lost". */
    private static void theFirstFiveHundred(Due due) throws ReflectiveOperationException {
        CarThreads x = Edges.nodes(2, 1);
        for (int told = 1; told <= 503; told++) {
            x.turn(told <= 500 ? 1 : 2);
            due.is("kept of " + told, count(x), Math.min(told, 500));
        }
        int[] row = (int[]) inside(x, "turnRow");
        due.is("the first", row[0], 1);
        due.is("the 500th", row[499], 1);
    }

    /** "and those of unknown nodes, are lost". */
    private static void thoseOfUnknownNodesAreLost(Due due) throws ReflectiveOperationException {
        CarThreads x = Edges.nodes(2, 1);
        for (int n : Edges.outside(1, 2)) {
            x.turn(n);
            due.is("kept behind turn(" + n + ")", count(x), 0);
        }
        x.turn(1);
        x.turn(2);
        due.is("both known ones", count(x), 2);
    }

    /** "all are gone then". */
    private static void goneBehindTheFirstMicrosecond(Due due) throws ReflectiveOperationException {
        CarThreads x = Edges.nodes(2, 2);
        x.turn(2);
        x.turn(2);
        x.run();
        due.is("kept behind the run", count(x), 0);
    }

    /** "A TURN of a node for the next run": it is not one for the run behind that. */
    private static void goneBehindARunOfNone(Due due) throws ReflectiveOperationException {
        CarThreads x = Edges.twoWaitBefore(1, 1);
        x.turn(1);
        x.turn(2);
        due.is("kept until the run", count(x), 2);
        due.is("run()", x.run(), 0);
        due.is("kept behind it", count(x), 0);
    }
}
