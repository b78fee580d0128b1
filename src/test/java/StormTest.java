import java.lang.reflect.InvocationTargetException;
import java.lang.reflect.Method;
import java.lang.reflect.Modifier;
import java.util.Arrays;
import java.util.Comparator;
import java.util.List;
import java.util.Random;

/** Calls by the score with any arguments in any state: none may throw, and the same calls give the same answers. */
public final class StormTest {
    private static final int[] EDGES = {
        Integer.MIN_VALUE, -1001, -3, -2, -1, 0, 1, 2, 3, 4, 5, 6, 7, 8, 9, 10, 11, 17, 18, 27, 33, 40, 41, 47, 60, 61, 63, 64,
        75, 89, 90, 99, 306, 307, 600, 601, Integer.MAX_VALUE,
    };
    private static final List<Method> FACE = Arrays.stream(FurnitureVotes.class.getDeclaredMethods())
        .filter(m -> Modifier.isPublic(m.getModifiers())).sorted(Comparator.comparing(Method::getName)).toList();

    private StormTest() {
    }

    public static void main(String[] args) {
        for (int seed = 1; seed <= 300; seed++) {
            Play.due("storm " + seed + " again", storm(seed), storm(seed));
        }
        Play.finish("StormTest");
    }

    /** All answers of a storm, mixed into one number. */
    private static long storm(int seed) {
        Random random = new Random(seed);
        FurnitureVotes votes = new FurnitureVotes();
        long mixed = 0;
        for (int call = 0; call < 300; call++) {
            if (call % 30 == 0) {
                votes.end(0);
                mixed = mixed * 31 + Play.tell(votes, call / 30 % 3, -1, someText(random, call / 30 % 3));
            }
            mixed = mixed * 31 + any(votes, random, seed);
        }
        return mixed;
    }

    private static String someText(Random random, int sort) {
        if (sort == 0) {
            Oracle.Room room = Oracle.randomRoom(random, 8, 6);
            // Full rooms are where a step too far would leave a row.
            while (random.nextInt(4) != 0 && (room.pieces.size() < 8 || room.people.size() < 6)) {
                room = Oracle.randomRoom(random, 8, 6);
            }
            return room.text();
        }
        return sort == 1 ? Oracle.deedsText(Oracle.randomDeeds(random, 40)) : Oracle.factsText(Oracle.randomFacts(random));
    }

    private static long any(FurnitureVotes votes, Random random, int seed) {
        Method method = FACE.get(random.nextInt(FACE.size()));
        Class<?>[] types = method.getParameterTypes();
        Object[] arguments = new Object[types.length];
        for (int i = 0; i < types.length; i++) {
            int number = random.nextInt(3) == 0 ? EDGES[random.nextInt(EDGES.length)] : random.nextInt(i == 0 ? 2 : 64);
            arguments[i] = types[i] == boolean.class ? (Object) random.nextBoolean() : (Object) number;
        }
        try {
            Object answer = method.invoke(votes, arguments);
            return answer instanceof Boolean ? (Boolean) answer ? 1 : 0 : ((Number) answer).longValue();
        } catch (InvocationTargetException | IllegalAccessException wrong) {
            Play.due("storm " + seed + ": " + method.getName() + Arrays.toString(arguments) + " threw " + wrong.getCause(), 1, 0);
            return 0;
        }
    }
}
