import java.lang.reflect.Member;
import java.lang.reflect.Method;
import java.lang.reflect.Modifier;
import java.util.ArrayList;
import java.util.Arrays;
import java.util.List;
import java.util.TreeSet;

/** "The public face" of the document, and LANGUAGE.md, rule 1, which lets nothing else be seen. */
public final class FaceTest {
    private static final List<String> FACE = List.of(
        "public CarThreads()",
        "public int CarThreads.node(int,int)",
        "public boolean CarThreads.waits(int,int,int)",
        "public void CarThreads.turn(int)",
        "public int CarThreads.run()",
        "public int CarThreads.log(int)",
        "public int CarThreads.safe(int)",
        "public int CarThreads.cut(int,long)",
        "public boolean CarThreads.interrupt(int)",
        "public int CarThreads.held(int,int)",
        "public int CarThreads.barrier(int)",
        "public int CarThreads.finished(int)",
        "public int CarThreads.close()");

    public static void main(String[] args) {
        Due due = new Due();
        faceIsTheDocuments(due);
        theClassStandsAlone(due);
        noPrivateMethodBearsAPublicName(due);
        due.end();
    }

    private static void faceIsTheDocuments(Due due) {
        List<Member> members = new ArrayList<>();
        members.addAll(Arrays.asList(CarThreads.class.getDeclaredConstructors()));
        members.addAll(Arrays.asList(CarThreads.class.getDeclaredMethods()));
        members.addAll(Arrays.asList(CarThreads.class.getDeclaredFields()));
        TreeSet<String> seen = new TreeSet<>();
        for (Member member : members) {
            if (!Modifier.isPrivate(member.getModifiers())) {
                seen.add(member.toString());
            }
        }
        due.is("the face is " + seen + ": as in the document", seen.equals(new TreeSet<>(FACE)), true);
    }

    private static void theClassStandsAlone(Due due) {
        Class<?> face = CarThreads.class;
        due.is("public", Modifier.isPublic(face.getModifiers()), true);
        due.is("final", Modifier.isFinal(face.getModifiers()), true);
        due.is("without a package", face.getPackageName().isEmpty(), true);
        due.is("above it", face.getSuperclass() == Object.class, true);
        due.is("interfaces", face.getInterfaces().length, 0);
    }

    private static void noPrivateMethodBearsAPublicName(Due due) {
        Method[] methods = CarThreads.class.getDeclaredMethods();
        long names = Arrays.stream(methods).map(Method::getName).distinct().count();
        due.is("names of methods", names, methods.length);
    }
}
