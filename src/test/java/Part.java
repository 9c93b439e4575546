import java.util.ArrayList;
import java.util.IdentityHashMap;
import java.util.List;
import java.util.Map;

/** A part of a table that is being written: numbers, and places of other parts. */
final class Part {
    private record Item(int size, int number, Part to) {
    }

    private final List<Item> items = new ArrayList<>();

    static Part of(int... numbers) {
        return new Part().u16(numbers);
    }

    Part u16(int... numbers) {
        for (int number : numbers) {
            items.add(new Item(2, number, null));
        }
        return this;
    }

    Part u32(int number) {
        items.add(new Item(4, number, null));
        return this;
    }

    /** A place of two bytes; null for 0. */
    Part to(Part... parts) {
        for (Part part : parts) {
            items.add(new Item(2, 0, part));
        }
        return this;
    }

    Part far(Part part) {
        items.add(new Item(4, 0, part));
        return this;
    }

    int size() {
        int size = 0;
        for (Item item : items) {
            size += item.size;
        }
        return size;
    }

    /** This part first, behind each part those that it leads to, at the end the last of those. */
    byte[] bytes() {
        return bytesInReverse(visited());
    }

    /** As bytes, but with a part at the end that leads to no other. */
    byte[] bytesEndingWith(Part last) {
        List<Part> order = visited();
        order.removeIf(part -> part == last);
        order.add(0, last);
        return bytesInReverse(order);
    }

    /** As bytes, but with a part just behind this one: places of it lead back, below 0. */
    byte[] bytesWithEarly(Part early) {
        List<Part> order = visited();
        order.removeIf(part -> part == early);
        order.add(order.size() - 1, early);
        return bytesInReverse(order);
    }

    private List<Part> visited() {
        List<Part> order = new ArrayList<>();
        visit(this, order, new IdentityHashMap<>());
        return order;
    }

    private static byte[] bytesInReverse(List<Part> order) {
        Map<Part, Integer> at = new IdentityHashMap<>();
        int size = 0;
        for (int k = order.size() - 1; k >= 0; k--) {
            at.put(order.get(k), size);
            size += order.get(k).size();
        }
        byte[] bytes = new byte[size];
        for (Part part : order) {
            int i = at.get(part);
            for (Item item : part.items) {
                int number = item.to == null ? item.number : at.get(item.to) - at.get(part);
                for (int shift = 8 * (item.size - 1); shift >= 0; shift -= 8) {
                    bytes[i++] = (byte) (number >> shift);
                }
            }
        }
        return bytes;
    }

    private static void visit(Part part, List<Part> order, Map<Part, Boolean> seen) {
        if (seen.put(part, true) != null) {
            return;
        }
        for (int k = part.items.size() - 1; k >= 0; k--) {
            if (part.items.get(k).to != null) {
                visit(part.items.get(k).to, order, seen);
            }
        }
        order.add(part);
    }
}
