import java.lang.reflect.Constructor;
import java.lang.reflect.Field;
import java.lang.reflect.Method;
import java.lang.reflect.Modifier;
import java.util.Arrays;
import java.util.TreeSet;

/** The public face: its constants, its constructor and its methods, and nothing else. */
public final class FaceTest {
    private static final String METHODS = "append/5 truncate/1 load/0 errorCode/0 errorPosition/0"
            + " yarnCount/0 shapeCount/0 sizeCount/0 pieceCount/0 days/0 undoCount/0 lengthTolerance/0"
            + " shadeTolerance/0 steam/0 find/1 length/1 knitted/1 shade/1 yarnOf/1 kindOf/1 state/1"
            + " inState/1 stretchLimit/1 longestShape/1 ifBoarded/2 sizeOf/1 ofSize/1 sorted/1"
            + " lengthRange/0 board/2 boardAll/1 day/0 dye/2 setTolerance/2 setSteam/1 isMatch/2 gap/2"
            + " matches/1 nearest/1 pairCount/0 pairGap/0 partner/1 pair/1 pairSize/1 seconds/0"
            + " groupCount/0 groupOf/1 pack/0 boxCount/0 ifDays/1 bestDay/1 ifAllBoarded/1 bestShape/0"
            + " leastSteam/2 leastTolerance/1 bestDye/1 undo/0 writePlant/0 outputByte/1 ifTolerance/2"
            + " worstPair/0 ofYarn/1 daysToSize/2 shapeFor/2";
    private static int wrong = 0;

    private static void due(String what, Object got, Object want) {
        if (!got.equals(want)) {
            wrong++;
            System.out.println(what + ": is " + got + ", due is " + want);
        }
    }

    public static void main(String[] args) throws Exception {
        due("modifiers", HosieryPlant.class.getModifiers(), Modifier.PUBLIC | Modifier.FINAL);
        due("methods", publicMethods(), new TreeSet<>(Arrays.asList(METHODS.split(" "))));
        due("constants", publicConstants(), new TreeSet<>(Arrays.asList(
                "NONE=-1", "INVALID=-2", "PARSE_ERROR=-4", "WRONG_STATE=-6")));
        Constructor<?>[] constructors = HosieryPlant.class.getConstructors();
        due("constructors", constructors.length, 1);
        due("constructor's parameters", constructors[0].getParameterCount(), 0);
        checkHidden();
        System.exit(wrong == 0 ? 0 : 1);
    }

    private static TreeSet<String> publicMethods() {
        TreeSet<String> found = new TreeSet<>();
        for (Method method : HosieryPlant.class.getDeclaredMethods()) {
            if (Modifier.isPublic(method.getModifiers())) {
                found.add(method.getName() + "/" + method.getParameterCount());
                due(method.getName() + " returns", method.getReturnType(), int.class);
                due(method.getName() + " is static", Modifier.isStatic(method.getModifiers()), false);
                for (Class<?> type : method.getParameterTypes()) {
                    due(method.getName() + " takes", type, int.class);
                }
            }
        }
        return found;
    }

    private static TreeSet<String> publicConstants() throws Exception {
        TreeSet<String> found = new TreeSet<>();
        for (Field field : HosieryPlant.class.getDeclaredFields()) {
            if (Modifier.isPublic(field.getModifiers())) {
                due(field.getName() + " is static and final",
                        Modifier.isStatic(field.getModifiers()) && Modifier.isFinal(field.getModifiers()), true);
                found.add(field.getName() + "=" + field.getInt(null));
            }
        }
        return found;
    }

    /** Everything else is private, and no private method bears the name of a public one. */
    private static void checkHidden() {
        for (Field field : HosieryPlant.class.getDeclaredFields()) {
            int modifiers = field.getModifiers();
            due(field.getName() + " is public or private",
                    Modifier.isPublic(modifiers) || Modifier.isPrivate(modifiers), true);
        }
        for (Method method : HosieryPlant.class.getDeclaredMethods()) {
            int modifiers = method.getModifiers();
            due(method.getName() + " is public or private",
                    Modifier.isPublic(modifiers) || Modifier.isPrivate(modifiers), true);
            if (Modifier.isPrivate(modifiers)) {
                due(method.getName() + " bears a public name", (METHODS + " ").contains(" " + method.getName() + "/"), false);
            }
        }
    }
}
