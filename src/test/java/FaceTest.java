import java.lang.reflect.Constructor;
import java.lang.reflect.Field;
import java.lang.reflect.Method;
import java.lang.reflect.Modifier;
import java.util.Set;
import java.util.TreeSet;

/** The public face is the document's, and nothing else of the class can be seen. */
public final class FaceTest {
    private static final Check CHECK = new Check();

    private static final String[] FACE = {
        "room(int)", "depth(int)", "tip()", "barrel(int)", "breath(int)", "limit(int)", "minutes(int)", "air(int)",
        "fewest(int)", "go(int,boolean)", "out(int,int,int)", "hose(int,int)", "stay(int)", "hang(int)",
        "man(int,int)", "thing(int,int,int,int)", "under(int,int,boolean)", "tangle(int,boolean)", "work(int,int)",
        "ofThing(int,int)", "tide(int)", "calm()", "best(int)", "tideOf(int)", "sign(int,int,int)",
        "heard(int,int)", "hear(int,int)", "tell()", "tight()", "free(int)", "entry(int,int,int)", "log(int,int)",
        "told(int)"};

    public static void main(String[] args) {
        Set<String> face = new TreeSet<>();
        Set<String> names = new TreeSet<>();
        for (String call : FACE) {
            face.add(call);
            names.add(call.substring(0, call.indexOf('(')));
        }
        Set<String> seen = new TreeSet<>();
        for (Method m : BellBook.class.getDeclaredMethods()) {
            if (Modifier.isPrivate(m.getModifiers())) {
                CHECK.due("a private method has the public name " + m.getName(), names.contains(m.getName()) ? 1 : 0, 0);
                continue;
            }
            seen.add(text(m));
            CHECK.due(m + " is public", Modifier.isPublic(m.getModifiers()) ? 1 : 0, 1);
            CHECK.due(m + " answers an int", m.getReturnType() == int.class ? 1 : 0, 1);
            CHECK.due(m + " is no static one", Modifier.isStatic(m.getModifiers()) ? 1 : 0, 0);
        }
        CHECK.due("methods " + seen, seen.equals(face) ? 1 : 0, 1);
        fields();
        nested(names);
        CHECK.due("final", Modifier.isFinal(BellBook.class.getModifiers()) ? 1 : 0, 1);
        Constructor<?>[] constructors = BellBook.class.getDeclaredConstructors();
        CHECK.due("constructors", constructors.length, 1);
        CHECK.due("constructor's parameters", constructors[0].getParameterCount(), 0);
        CHECK.due("constructor is public", Modifier.isPublic(constructors[0].getModifiers()) ? 1 : 0, 1);
        CHECK.finish();
    }

    private static String text(Method m) {
        StringBuilder text = new StringBuilder(m.getName()).append('(');
        for (Class<?> type : m.getParameterTypes()) {
            if (text.charAt(text.length() - 1) != '(') text.append(',');
            text.append(type.getName());
        }
        return text.append(')').toString();
    }

    private static void fields() {
        String[] constants = {"UNKNOWN", "OUTSIDE", "STATE", "FULL", "NO", "NONE"};
        int[] values = {BellBook.UNKNOWN, BellBook.OUTSIDE, BellBook.STATE, BellBook.FULL, BellBook.NO, BellBook.NONE};
        for (int i = 0; i < 6; i++) CHECK.due(constants[i], values[i], -1 - i);
        int shown = 0;
        for (Field f : BellBook.class.getDeclaredFields()) {
            if (!Modifier.isPrivate(f.getModifiers())) shown++;
        }
        CHECK.due("fields that can be seen", shown, 6);
    }

    private static void nested(Set<String> names) {
        for (Class<?> inside : BellBook.class.getDeclaredClasses()) {
            CHECK.due(inside + " is static", Modifier.isStatic(inside.getModifiers()) ? 1 : 0, 1);
            CHECK.due(inside + " is public", Modifier.isPublic(inside.getModifiers()) ? 1 : 0, 0);
            for (Method m : inside.getDeclaredMethods()) {
                CHECK.due(m + " has a public name", names.contains(m.getName()) ? 1 : 0, 0);
            }
            int own = 0;
            for (Field f : inside.getDeclaredFields()) {
                if (!Modifier.isStatic(f.getModifiers())) own++;
                else CHECK.due(f + " is final", Modifier.isFinal(f.getModifiers()) ? 1 : 0, 1);
            }
            CHECK.due(inside + " has some twenty fields at most", own <= 20 ? 1 : 0, 1);
        }
    }
}
