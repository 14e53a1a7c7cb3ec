import java.lang.reflect.Constructor;
import java.lang.reflect.Field;
import java.lang.reflect.Method;
import java.lang.reflect.Modifier;
import java.util.ArrayList;
import java.util.List;
import java.util.TreeSet;

/** The face of the document and nothing beside it (rules 1, 5 and 11 of LANGUAGE.md). */
public final class FaceTest {
    private static final String[] FACE = {
        "int feed(int,int,int,int,int)", "boolean end(int)", "int text()", "int fault()", "int now(int)",
        "int item(int,int)", "int move(int,int) NoSuchElementException", "int book(int,int,int,int)",
        "int transit(int,int,int)", "int below(int,int)", "int count(int,int) NoSuchElementException",
        "int difference(int)", "int share(int)", "int chosen(int,int)", "int due()", "int explained(int,int)",
        "int adjusted(int,int)", "int moves(int,int)", "boolean leg(int,int,int,int,int)",
        "int narrow(int,int,int,int)", "int counts(int,int,int,int,int)", "int post(int,int)",
        "boolean drop(int)", "int undo()",
    };

    private FaceTest() {
    }

    public static void main(String[] args) {
        Check check = new Check("FaceTest");
        List<String> wanted = List.of(FACE);
        List<String> found = new ArrayList<>();
        TreeSet<String> faceNames = new TreeSet<>();
        for (Method method : RunningCount.class.getDeclaredMethods()) {
            if (!Modifier.isPrivate(method.getModifiers())) {
                found.add(told(method));
                faceNames.add(method.getName());
                check.due("public " + method, Modifier.isPublic(method.getModifiers()), true);
                check.due("not static " + method, Modifier.isStatic(method.getModifiers()), false);
            }
        }
        check.due("the face " + new TreeSet<>(found), new TreeSet<>(found).equals(new TreeSet<>(wanted)), true);
        check.due("how many methods", found.size(), wanted.size());
        check.due("the class is final", Modifier.isFinal(RunningCount.class.getModifiers()), true);
        check.due("NONE", RunningCount.NONE, -1);
        for (Constructor<?> made : RunningCount.class.getDeclaredConstructors()) {
            check.due("constructor " + made, Modifier.isPublic(made.getModifiers())
                    && made.getParameterCount() == 0, true);
        }
        for (Field field : RunningCount.class.getDeclaredFields()) {
            check.due("field " + field, Modifier.isPrivate(field.getModifiers())
                    || field.getName().equals("NONE"), true);
        }
        checkInside(check, RunningCount.class, faceNames);
        for (Class<?> inside : RunningCount.class.getDeclaredClasses()) {
            check.due("static " + inside, Modifier.isStatic(inside.getModifiers()), true);
            checkInside(check, inside, faceNames);
        }
        check.due("at most twelve classes", RunningCount.class.getDeclaredClasses().length < 12, true);
        check.end();
    }

    private static String told(Method method) {
        StringBuilder told = new StringBuilder();
        told.append(method.getReturnType().getSimpleName()).append(' ').append(method.getName()).append('(');
        for (Class<?> type : method.getParameterTypes()) {
            told.append(told.charAt(told.length() - 1) == '(' ? "" : ",").append(type.getSimpleName());
        }
        told.append(')');
        for (Class<?> thrown : method.getExceptionTypes()) {
            told.append(' ').append(thrown.getSimpleName());
        }
        return told.toString();
    }

    private static void checkInside(Check check, Class<?> kind, TreeSet<String> faceNames) {
        int fields = 0;
        for (Field field : kind.getDeclaredFields()) {
            boolean constant = Modifier.isStatic(field.getModifiers());
            fields += constant ? 0 : 1;
            check.due("final " + field, !constant || Modifier.isFinal(field.getModifiers()), true);
        }
        check.due("at most twenty fields: " + kind, fields <= 20, true);
        for (Method method : kind.getDeclaredMethods()) {
            boolean hidden = !Modifier.isPublic(method.getModifiers());
            check.due("its own name: " + method, hidden && faceNames.contains(method.getName()), false);
            check.due("at most seven parameters: " + method, method.getParameterCount() <= 7, true);
        }
    }
}
