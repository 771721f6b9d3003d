import java.lang.reflect.Constructor;
import java.lang.reflect.Field;
import java.lang.reflect.Method;
import java.lang.reflect.Modifier;
import java.util.Set;
import java.util.TreeSet;

/** The public face: all of it, and nothing beside it that others could see. */
public final class FaceTest {
    private static final String[] METHODS = {
        "public int TileArray.cell(int,boolean,boolean)",
        "public boolean TileArray.connect(int,int,int)",
        "public boolean TileArray.output(int,int)",
        "public boolean TileArray.fix(int,int)",
        "public int TileArray.build()",
        "public int TileArray.tileOf(int)",
        "public int TileArray.cost()",
        "public long TileArray.bits(int)",
        "public boolean TileArray.load(int,long)",
        "public int TileArray.checkSum()",
        "public int TileArray.pin(int,int)",
        "public int TileArray.outputOf(int)",
        "public int TileArray.channels(int,int)",
        "public double TileArray.longest()",
        "public double TileArray.slack(double)",
        "public void TileArray.reset()",
        "public int TileArray.clock(int)",
        "public int TileArray.run(int)",
    };

    public static void main(String[] args) {
        Due due = new Due("FaceTest");
        due.is("NONE", TileArray.NONE, -1);
        due.is("RING", TileArray.RING, -2);
        due.is("UNROUTED", TileArray.UNROUTED, -3);
        due.is("the class is public and final", TileArray.class.getModifiers(),
                Modifier.PUBLIC | Modifier.FINAL);
        methods(due);
        constructors(due);
        fields(due);
        nestedNames(due);
        due.end();
    }

    private static void methods(Due due) {
        Set<String> want = new TreeSet<>(Set.of(METHODS));
        for (Method method : TileArray.class.getDeclaredMethods()) {
            boolean hidden = Modifier.isPrivate(method.getModifiers());
            String text = method.toString();
            due.is(text + " is due or private", hidden || want.remove(text), true);
        }
        for (String missing : want) {
            due.is(missing + " is there", false, true);
        }
    }

    private static void constructors(Due due) {
        Constructor<?>[] all = TileArray.class.getDeclaredConstructors();
        due.is("constructors", all.length, 1);
        due.is("public TileArray() is there", all[0].toString().equals("public TileArray()"), true);
    }

    private static void fields(Due due) {
        Set<String> open = new TreeSet<>();
        for (Field field : TileArray.class.getDeclaredFields()) {
            int modifiers = field.getModifiers();
            if (!Modifier.isPrivate(modifiers)) {
                open.add(field.toString());
            } else {
                due.is(field + " is no static that changes",
                        !Modifier.isStatic(modifiers) || Modifier.isFinal(modifiers), true);
            }
        }
        due.is("the constants and no other: " + open, open.equals(Set.of(
                "public static final int TileArray.NONE",
                "public static final int TileArray.RING",
                "public static final int TileArray.UNROUTED")), true);
    }

    private static void nestedNames(Due due) {
        Set<String> names = new TreeSet<>();
        for (String method : METHODS) {
            names.add(method.substring(method.indexOf('.') + 1, method.indexOf('(')));
        }
        for (Class<?> nested : TileArray.class.getDeclaredClasses()) {
            due.is(nested + " is static and not public", nested.getModifiers()
                    & (Modifier.STATIC | Modifier.PUBLIC | Modifier.PROTECTED), Modifier.STATIC);
            for (Method method : nested.getDeclaredMethods()) {
                due.is(method + " has a name of its own", names.contains(method.getName()), false);
            }
        }
    }
}
