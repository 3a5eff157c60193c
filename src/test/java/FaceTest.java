import java.lang.reflect.Constructor;
import java.lang.reflect.Field;
import java.lang.reflect.Method;
import java.lang.reflect.Modifier;
import java.util.Set;
import java.util.TreeSet;

/** The public face of the document: its constants and its calls, and nothing else that others could see. */
public final class FaceTest {
    private static final Set<String> CALLS = Set.of("begin(int)", "holds(int,int)", "answers(int,int,int,int,int)",
            "wrong(int,int,int)", "takeBack(int)", "mark(int,int,int)", "ofOwner(int,int)", "ofFact(int,int)",
            "count(int)", "envelope(int,int)", "gain(int,int,int,int,int)", "must(int,int)", "deeper()",
            "bestQuestion(int,int)", "put(long)", "wipe()", "fault()", "carryOut()", "undo()", "save(int)",
            "restore(int)");

    public static void main(String[] args) throws IllegalAccessException {
        Due due = new Due("FaceTest");
        due.is("public and final", SheetMarks.class.getModifiers(), Modifier.PUBLIC | Modifier.FINAL);
        String[] names = {"NO_SUCH", "BAD_VALUE", "BAD_TEXT", "TOO_MANY", "NOT_POSSIBLE", "NONE", "HOLDS", "REFUSES",
            "SHOWS", "WRONG"};
        int[] values = {-1, -2, -3, -4, -5, -6, 0, 1, 2, 3};
        Set<String> seen = new TreeSet<>();
        for (Field field : SheetMarks.class.getDeclaredFields()) {
            if (!Modifier.isPrivate(field.getModifiers())) {
                seen.add(field.getName());
                for (int i = 0; i < names.length; i++) {
                    if (field.getName().equals(names[i])) {
                        due.is(names[i], field.getInt(null), values[i]);
                    }
                }
            }
        }
        due.is("constants", seen.equals(new TreeSet<>(Set.of(names))) ? 1 : 0, 1);
        Set<String> calls = new TreeSet<>();
        Set<String> publicNames = new TreeSet<>();
        for (String call : CALLS) {
            publicNames.add(call.substring(0, call.indexOf('(')));
        }
        for (Method method : SheetMarks.class.getDeclaredMethods()) {
            if (!Modifier.isPrivate(method.getModifiers())) {
                StringBuilder call = new StringBuilder();
                for (Class<?> type : method.getParameterTypes()) {
                    call.append(call.length() > 0 ? "," : "").append(type.getName());
                }
                calls.add(method.getName() + "(" + call + ")");
                due.is(method.getName() + " answers an int", method.getReturnType() == int.class ? 1 : 0, 1);
            } else {
                due.is("private " + method.getName(), publicNames.contains(method.getName()) ? 1 : 0, 0);
            }
        }
        due.is("calls", calls.equals(new TreeSet<>(CALLS)) ? 1 : 0, 1);
        for (Constructor<?> constructor : SheetMarks.class.getDeclaredConstructors()) {
            due.is("constructor", Modifier.isPublic(constructor.getModifiers()) ? constructor.getParameterCount() : 9, 0);
        }
        for (Class<?> inside : SheetMarks.class.getDeclaredClasses()) {
            int seenFrom = inside.getModifiers() & (Modifier.PUBLIC | Modifier.PROTECTED);
            due.is(inside.getName() + " is seen inside alone", seenFrom, 0);
            due.is(inside.getName() + " is static", Modifier.isStatic(inside.getModifiers()) ? 1 : 0, 1);
        }
        due.end();
    }
}
