import java.lang.reflect.Constructor;
import java.lang.reflect.Field;
import java.lang.reflect.Method;
import java.lang.reflect.Modifier;
import java.util.Arrays;
import java.util.Set;
import java.util.TreeSet;

/** The public face: what the document lists, and nothing else that is not private. */
public final class FaceTest {
    private static final String[] METHODS = {
        "addGroup(int,int)", "removeGroup(int)", "setVoters(int,int)", "exchange(int,int)",
        "setStanding(int,boolean)", "standing()", "groupCount()", "voters(int)", "ballot(int)", "allVoters()",
        "pair(int,int)", "winners(int)", "winner(int)", "points(int,int)", "beatsAll()", "losesToAll()", "smith()",
        "strength(int,int)", "isLocked(int,int)", "rounds(int)", "leaves(int,int)", "tally(int,int,int)",
        "kemenyValue()", "kemeny(int)", "favourite()", "strategy(int,int)", "strategyAt(int,int,int)",
        "strategists(int)", "absentees(int)", "raisers(int)", "spoilers(int)", "split(int)", "removals(int)",
        "sample(int,int,int)", "agreeing(int,int,int,int)", "undo()", "type(int)", "clearText()", "textFault()",
        "load()"};

    public static void main(String[] args) throws IllegalAccessException {
        Class<?> face = RankedVotes.class;
        Check.due("the class is public and final", face.getModifiers(), Modifier.PUBLIC | Modifier.FINAL);
        constants(face);
        constructors(face);
        methods(face);
        Check.finish();
    }

    private static void constants(Class<?> face) throws IllegalAccessException {
        String[] names = {"NONE", "BAD_INDEX", "BAD_VALUE", "BAD_STATE", "FULL"};
        int found = 0;
        for (Field field : face.getDeclaredFields()) {
            if (Modifier.isPrivate(field.getModifiers())) {
                continue;
            }
            int place = Arrays.asList(names).indexOf(field.getName());
            Check.due(field.getName() + " is a constant of the document", place >= 0 ? 1 : 0, 1);
            Check.due(field.getName() + "'s modifiers", field.getModifiers(),
                Modifier.PUBLIC | Modifier.STATIC | Modifier.FINAL);
            Check.due(field.getName(), field.getInt(null), -1000000 - place);
            found++;
        }
        Check.due("constants", found, names.length);
    }

    private static void constructors(Class<?> face) {
        Constructor<?>[] constructors = face.getDeclaredConstructors();
        Check.due("constructors", constructors.length, 1);
        Check.due("the constructor's modifiers", constructors[0].getModifiers(), Modifier.PUBLIC);
        Check.due("the constructor's parameters", constructors[0].getParameterCount(), 0);
    }

    private static void methods(Class<?> face) {
        Set<String> due = new TreeSet<>(Arrays.asList(METHODS));
        Set<String> names = new TreeSet<>();
        for (String method : due) {
            names.add(method.substring(0, method.indexOf('(')));
        }
        int found = 0;
        for (Method method : face.getDeclaredMethods()) {
            if (Modifier.isPrivate(method.getModifiers())) {
                Check.due("private " + method.getName() + " bears a public name",
                    names.contains(method.getName()) ? 1 : 0, 0);
                continue;
            }
            StringBuilder signature = new StringBuilder(method.getName()).append('(');
            for (Class<?> type : method.getParameterTypes()) {
                signature.append(signature.charAt(signature.length() - 1) == '(' ? "" : ",").append(type.getName());
            }
            signature.append(')');
            Check.due(signature + " is in the document", due.contains(signature.toString()) ? 1 : 0, 1);
            Check.due(signature + " is public and answers an int",
                method.getReturnType() == int.class && method.getModifiers() == Modifier.PUBLIC ? 1 : 0, 1);
            found++;
        }
        Check.due("methods", found, METHODS.length);
    }
}
