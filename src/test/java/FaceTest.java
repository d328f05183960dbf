import java.lang.reflect.Constructor;
import java.lang.reflect.Executable;
import java.lang.reflect.Field;
import java.lang.reflect.Member;
import java.lang.reflect.Method;
import java.lang.reflect.Modifier;
import java.util.ArrayList;
import java.util.Collections;
import java.util.List;

/** The class has the face that the document writes out ("The public face"), and nothing beside it (LANGUAGE.md, 1, 5). */
public final class FaceTest {
    /** As the document writes it out. */
    private static final String FACE = """
        public TubePost();
        public int addStation(int room, int handling) throws IllegalArgumentException, IllegalStateException;
        public int addTube(int from, int to, int length, int speed, int bore) throws IndexOutOfBoundsException, IllegalArgumentException, IllegalStateException;
        public int turn(int station, int way) throws IndexOutOfBoundsException, IllegalArgumentException;
        public int setTube(int tube, int speed, boolean isOpen) throws IndexOutOfBoundsException, IllegalArgumentException;
        public int addEntry(int first, int period, int sort, int what, int how) throws IllegalArgumentException, IndexOutOfBoundsException, IllegalStateException;
        public int send(int from, int aim, int rank) throws IndexOutOfBoundsException, IllegalArgumentException, IllegalStateException;
        public int run(int ticks) throws IllegalArgumentException;
        public int carrier(int carrier, int what) throws IndexOutOfBoundsException;
        public int count(int what) throws IndexOutOfBoundsException;
        public int station(int station, int what) throws IndexOutOfBoundsException;
        public int tube(int tube, int what) throws IndexOutOfBoundsException;
        public int there(int station, int index) throws IndexOutOfBoundsException;
        public int time(int from, int aim) throws IndexOutOfBoundsException;
        public int next(int from, int aim) throws IndexOutOfBoundsException;
        public int parts(int tube) throws IndexOutOfBoundsException;
        public double mean();
        public long digest();
        """;

    public static void main(String[] args) {
        facesAreTheSame();
        nothingElseIsSeen();
        insideIsClosed();
        Due.close("FaceTest");
    }

    private static void facesAreTheSame() {
        List<String> due = faceOfTheDocument();
        List<String> found = faceOfTheClass();
        Due.same("members of the face", found.size(), due.size());
        for (String member : due) {
            Due.same("has " + member, found.contains(member) ? 1 : 0, 1);
        }
        Due.same("is public and final", TubePost.class.getModifiers(), Modifier.PUBLIC | Modifier.FINAL);
    }

    /** Each line of the face, without the names of the parameters. */
    private static List<String> faceOfTheDocument() {
        List<String> members = new ArrayList<>();
        for (String line : FACE.split("\n")) {
            members.add(line.replace(";", "").replaceAll("(int|boolean) \\w+([,)])", "$1$2"));
        }
        Collections.sort(members);
        return members;
    }

    private static List<String> faceOfTheClass() {
        List<String> members = new ArrayList<>();
        for (Constructor<?> made : TubePost.class.getDeclaredConstructors()) {
            if (!isHidden(made)) {
                members.add(Modifier.toString(made.getModifiers()) + " TubePost" + parametersAndThrows(made));
            }
        }
        for (Method method : TubePost.class.getDeclaredMethods()) {
            if (!isHidden(method)) {
                members.add(Modifier.toString(method.getModifiers()) + " " + method.getReturnType().getSimpleName() + " "
                        + method.getName() + parametersAndThrows(method));
            }
        }
        Collections.sort(members);
        return members;
    }

    private static boolean isHidden(Member member) {
        return Modifier.isPrivate(member.getModifiers()) || member.isSynthetic();
    }

    private static String parametersAndThrows(Executable call) {
        String parameters = names(call.getParameterTypes());
        String thrown = names(call.getExceptionTypes());
        return "(" + parameters + ")" + (thrown.isEmpty() ? "" : " throws " + thrown);
    }

    private static String names(Class<?>[] types) {
        List<String> names = new ArrayList<>();
        for (Class<?> type : types) {
            names.add(type.getSimpleName());
        }
        return String.join(", ", names);
    }

    private static void nothingElseIsSeen() {
        for (Field field : TubePost.class.getDeclaredFields()) {
            Due.same(field.getName() + " is private", isHidden(field) ? 1 : 0, 1);
            lookAtStatic("TubePost", field);
        }
        for (Method method : TubePost.class.getDeclaredMethods()) {
            if (isHidden(method)) {
                Due.same(method.getName() + " bears no name of the face", isOfTheFace(method.getName()) ? 1 : 0, 0);
            }
        }
    }

    private static boolean isOfTheFace(String name) {
        for (Method method : TubePost.class.getMethods()) {
            if (method.getDeclaringClass() == TubePost.class && method.getName().equals(name)) {
                return true;
            }
        }
        return false;
    }

    private static void insideIsClosed() {
        for (Class<?> inside : TubePost.class.getDeclaredClasses()) {
            String name = inside.getSimpleName();
            Due.same(name + " is private and static", inside.getModifiers() & (Modifier.PRIVATE | Modifier.STATIC),
                    Modifier.PRIVATE | Modifier.STATIC);
            for (Field field : inside.getDeclaredFields()) {
                Due.same(name + "." + field.getName() + " is private", isHidden(field) ? 1 : 0, 1);
                lookAtStatic(name, field);
            }
            for (Method method : inside.getDeclaredMethods()) {
                Due.same(name + "." + method.getName() + " is private", isHidden(method) ? 1 : 0, 1);
                Due.same(name + "." + method.getName() + " bears no name of the face",
                        isOfTheFace(method.getName()) ? 1 : 0, 0);
            }
        }
    }

    private static void lookAtStatic(String owner, Field field) {
        int modifiers = field.getModifiers();
        boolean holds = !Modifier.isStatic(modifiers) || Modifier.isFinal(modifiers);
        Due.same(owner + "." + field.getName() + " is final, if static", holds ? 1 : 0, 1);
    }
}
