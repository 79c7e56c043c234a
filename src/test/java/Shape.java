import java.util.ArrayList;
import java.util.List;

/** The tree of a version as childOf, isLeaf and entryCount show it. */
final class Shape {
    final List<Integer> leaves = new ArrayList<>();
    final List<Integer> depths = new ArrayList<>();
    final List<Integer> inner = new ArrayList<>();
    final List<Integer> lastPath = new ArrayList<>();
    private final VectorVersions x;

    Shape(VectorVersions x, int version) {
        this.x = x;
        int root = x.rootOf(version);
        if (root != VectorVersions.NONE) {
            walk(root, 1, true);
        }
    }

    private void walk(int node, int depth, boolean last) {
        if (last) {
            lastPath.add(node);
        }
        if (x.isLeaf(node)) {
            leaves.add(node);
            depths.add(depth);
            return;
        }
        inner.add(node);
        int children = x.entryCount(node);
        for (int i = 0; i < children; i++) {
            walk(x.childOf(node, i), depth + 1, last && i == children - 1);
        }
    }
}
