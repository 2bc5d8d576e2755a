import java.lang.reflect.Array;
import java.lang.reflect.Field;
import java.lang.reflect.Modifier;
import java.util.ArrayList;
import java.util.IdentityHashMap;
import java.util.List;
import java.util.Map;

/**
 * No run of calls makes isBalanced answer 0, so here each number that a house holds is made wrong in turn, in a house of
 * its own; where the other answers tell then that the books are wrong, isBalanced must tell it too.
 */
public final class BalanceTest extends Checks {
    private static final int[] WRONG_BY = {-1, 1, 7};

    /** Where one number is held: an element of a row, or a field. */
    private static final class Place {
        private final Object holder;
        private final Field field;
        private final int index;

        Place(Object holder, Field field, int index) {
            this.holder = holder;
            this.field = field;
            this.index = index;
        }

        void add(int amount) throws IllegalAccessException {
            if (field == null) {
                Array.setInt(holder, index, Array.getInt(holder, index) + amount);
            } else {
                field.setInt(holder, field.getInt(holder) + amount);
            }
        }
    }

    private static List<Place> places(PittanceHouse x) throws IllegalAccessException {
        List<Place> places = new ArrayList<>();
        collect(x, places, new IdentityHashMap<>());
        return places;
    }

    private static void collect(Object holder, List<Place> places, Map<Object, Boolean> seen) throws IllegalAccessException {
        if (holder == null || seen.put(holder, true) != null) {
            return;
        }
        if (holder instanceof int[]) {
            for (int i = 0; i < Array.getLength(holder); i++) {
                places.add(new Place(holder, null, i));
            }
            return;
        }
        for (Field field : holder.getClass().getDeclaredFields()) {
            field.setAccessible(true);
            if (Modifier.isStatic(field.getModifiers())) {
                continue;
            }
            if (field.getType() == int.class) {
                places.add(new Place(holder, field, 0));
            } else if (!field.getType().isPrimitive()) {
                collect(field.get(holder), places, seen);
            }
        }
    }

    private static PittanceHouse used() {
        PittanceHouse x = housed(5, 3);
        x.feast(0, 5);
        x.weeks(60);
        x.weeks(60);
        x.breach(0, 0);
        x.leave(2);
        return x;
    }

    private static boolean isChestWrong(PittanceHouse x) {
        return x.account(9) != 100 + x.account(10) - x.account(11) - x.account(12);
    }

    private static boolean isPaidWrong(PittanceHouse x) {
        int got = 0;
        for (int b = 0; b < 5; b++) {
            got += x.brotherOf(b, 6);
        }
        return x.account(11) != got;
    }

    private static boolean isOneInTwoCells(PittanceHouse x) {
        for (int cell = 1; cell < 8; cell++) {
            for (int other = 0; other < cell; other++) {
                if (x.inCell(cell) >= 0 && x.inCell(cell) < 5 && x.inCell(cell) == x.inCell(other)) {
                    return true;
                }
            }
        }
        return false;
    }

    private static boolean isOneInNoCell(PittanceHouse x) {
        for (int b = 0; b < 5; b++) {
            int cells = 0;
            for (int cell = 0; cell < 8; cell++) {
                cells += x.inCell(cell) == b ? 1 : 0;
            }
            if (x.brotherOf(b, 2) == 1 && cells == 0) {
                return true;
            }
        }
        return false;
    }

    public static void main(String[] args) throws IllegalAccessException {
        about("32 isBalanced");
        is(used().isBalanced(), 1);
        int[] kinds = new int[4];
        int many = places(used()).size();
        for (int place = 0; place < many; place++) {
            for (int amount : WRONG_BY) {
                PittanceHouse x = used();
                places(x).get(place).add(amount);
                if (x.account(2) != 5) {
                    continue;
                }
                boolean[] wrong = {isChestWrong(x), isPaidWrong(x), isOneInTwoCells(x), isOneInNoCell(x)};
                boolean isWrong = false;
                for (int kind = 0; kind < 4; kind++) {
                    kinds[kind] += wrong[kind] ? 1 : 0;
                    isWrong = isWrong || wrong[kind];
                }
                if (isWrong) {
                    due("isBalanced() with the place " + place + " wrong by " + amount, x.isBalanced(), 0);
                }
            }
        }
        for (int kind = 0; kind < 4; kind++) {
            due("houses of the kind " + kind + " seen", kinds[kind] > 0 ? 1 : 0, 1);
        }
        end("isBalanced sees what is wrong");
    }
}
